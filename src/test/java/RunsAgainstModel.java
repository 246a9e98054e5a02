import java.util.ArrayList;
import java.util.List;
import java.util.Random;

/**
 * Runs of 512 calls, always the same ones, against a model that keeps a list for each tile and
 * finds the tiles place by place.
 */
public final class RunsAgainstModel {
    private static final int[] EDGES = {Integer.MIN_VALUE, Integer.MIN_VALUE + 1, -1, 0, 1, 7, 8, 9,
        15, 16, 63, 64, 1023, 1024, 1025, 4096, 8192, 8193, Integer.MAX_VALUE};
    private static final int[] SIDES = {8, 16, 32, 64};

    public static void main(String[] args) {
        Answers answers = new Answers();
        for (int run = 0; run < 400; run++) {
            oneRun(answers, run);
        }
        answers.end();
    }

    private static void oneRun(Answers answers, int run) {
        Random random = new Random(run);
        TileBins bins = new TileBins();
        Model model = new Model();
        for (int call = 0; call < 512; call++) {
            int kind = random.nextInt(100);
            int[] a = arguments(random, model, kind);
            String name = "run " + run + ", call " + call + ": " + nameOf(kind, a);
            answers.same(name, answerOf(bins, kind, a), model.answerOf(kind, a));
        }
    }

    private static String nameOf(int kind, int[] a) {
        return (kind < 2 ? "field" : kind < 35 ? "put" : kind < 37 ? "empty" : kind < 47 ? "open"
                : kind < 70 ? "next" : kind < 80 ? "item" : kind < 88 ? "tile"
                : kind < 94 ? "tileOf" : "count") + java.util.Arrays.toString(a);
    }

    private static String answerOf(TileBins bins, int kind, int[] a) {
        try {
            if (kind < 2) {
                return "" + bins.field(a[0], a[1], a[2], a[3]);
            } else if (kind < 35) {
                return "" + bins.put(a[0], a[1], a[2], a[3], a[4]);
            } else if (kind < 37) {
                bins.empty();
                return "";
            } else if (kind < 47) {
                return "" + bins.open(a[0]);
            } else if (kind < 70) {
                return "" + bins.next();
            } else if (kind < 80) {
                return "" + bins.item(a[0], a[1]);
            } else if (kind < 88) {
                return "" + bins.tile(a[0], a[1]);
            } else if (kind < 94) {
                return "" + bins.tileOf(a[0], a[1]);
            }
            return "" + bins.count(a[0]);
        } catch (RuntimeException e) {
            return "throws." + e.getClass().getSimpleName();
        }
    }

    private static int[] arguments(Random random, Model model, int kind) {
        int[] a = new int[5];
        if (kind < 2) {
            int most = random.nextBoolean() ? 100 : 1024;
            a[0] = 1 + random.nextInt(most);
            a[1] = 1 + random.nextInt(most);
            a[2] = SIDES[random.nextInt(4)];
            a[3] = 1 + random.nextInt(random.nextBoolean() ? 60 : 8192);
        } else if (kind < 35) {
            a[0] = random.nextInt(model.wide + 20) - 10;
            a[1] = random.nextInt(model.high + 20) - 10;
            a[2] = a[0] + random.nextInt(random.nextBoolean() ? 20 : model.wide + 20) - 2;
            a[3] = a[1] + random.nextInt(random.nextBoolean() ? 20 : model.high + 20) - 2;
            a[4] = random.nextInt();
        } else if (kind >= 70 && kind < 80) {
            a[0] = random.nextInt(model.items.size() + 2) - 1;
            a[1] = random.nextInt(8) - 1;
        } else if (kind >= 88 && kind < 94) {
            a[0] = random.nextInt(model.wide + 2) - 1;
            a[1] = random.nextInt(model.high + 2) - 1;
        } else if (kind >= 94) {
            a[0] = random.nextInt(7) - 1;
        } else {
            a[0] = random.nextInt(random.nextBoolean() ? 4 : model.tiles.size() + 2) - 1;
            a[1] = random.nextInt(7) - 1;
        }
        if (random.nextInt(8) == 0) {
            a[random.nextInt(5)] = EDGES[random.nextInt(EDGES.length)];
        }
        return a;
    }

    private static final class Model {
        int wide;
        int high;
        int side;
        int cells;
        int taken;
        int opened;
        int come;
        final List<int[]> items = new ArrayList<>();
        final List<List<Integer>> tiles = new ArrayList<>();

        Model() {
            field(1, 1, 8, 64);
        }

        String answerOf(int kind, int[] a) {
            if (kind < 2) {
                return field(a[0], a[1], a[2], a[3]);
            } else if (kind < 35) {
                return put(a);
            } else if (kind < 37) {
                clear();
                return "";
            } else if (kind < 47) {
                return open(a[0]);
            } else if (kind < 70) {
                return next();
            } else if (kind < 80) {
                return item(a[0], a[1]);
            } else if (kind < 88) {
                return tile(a[0], a[1]);
            } else if (kind < 94) {
                return tileOf(a[0], a[1]);
            }
            int[] counts = {items.size(), taken, cells, tiles.size(), opened};
            return a[0] < 0 || a[0] > 4 ? "throws.IllegalArgumentException" : "" + counts[a[0]];
        }

        private String field(int newWide, int newHigh, int newSide, int newCells) {
            boolean isSide = false;
            for (int one : SIDES) {
                isSide |= one == newSide;
            }
            if (newWide < 1 || newWide > 1024 || newHigh < 1 || newHigh > 1024 || !isSide
                    || newCells < 1 || newCells > 8192) {
                return "throws.IllegalArgumentException";
            }
            wide = newWide;
            high = newHigh;
            side = newSide;
            cells = newCells;
            tiles.clear();
            for (int y = 0; y < high; y += side) {
                for (int x = 0; x < wide; x += side) {
                    tiles.add(new ArrayList<>());
                }
            }
            clear();
            return "" + tiles.size();
        }

        private void clear() {
            items.clear();
            for (List<Integer> tile : tiles) {
                tile.clear();
            }
            taken = 0;
            opened = -1;
        }

        private String put(int[] a) {
            List<Integer> xs = placesIn(a[0], a[2], wide);
            List<Integer> ys = placesIn(a[1], a[3], high);
            List<Integer> touched = new ArrayList<>();
            if (!xs.isEmpty() && !ys.isEmpty()) {
                for (int y : ys) {
                    for (int x : xs) {
                        boolean first = (x % side == 0 || x == xs.get(0))
                                && (y % side == 0 || y == ys.get(0));
                        if (first) {
                            touched.add(numberAt(x, y));
                        }
                    }
                }
            }
            if (taken + touched.size() > cells || items.size() == 4096) {
                return "throws.IllegalStateException";
            }
            taken += touched.size();
            for (int tile : touched) {
                tiles.get(tile).add(items.size());
            }
            boolean in = !touched.isEmpty();
            items.add(new int[] {in ? xs.get(0) : 0, in ? ys.get(0) : 0,
                in ? xs.get(xs.size() - 1) + 1 : 0, in ? ys.get(ys.size() - 1) + 1 : 0, a[4],
                touched.size()});
            return "" + (items.size() - 1);
        }

        private static List<Integer> placesIn(int from, int to, int length) {
            List<Integer> places = new ArrayList<>();
            for (int place = 0; place < length; place++) {
                if (from <= place && place < to) {
                    places.add(place);
                }
            }
            return places;
        }

        private int numberAt(int x, int y) {
            int inRow = wide % side == 0 ? wide / side : wide / side + 1;
            return y / side * inRow + x / side;
        }

        private String open(int tile) {
            if (tile < 0 || tile >= tiles.size()) {
                return "throws.IllegalArgumentException";
            }
            opened = tile;
            come = 0;
            return "" + tiles.get(tile).size();
        }

        private String next() {
            if (opened == -1) {
                return "throws.IllegalStateException";
            }
            List<Integer> tile = tiles.get(opened);
            return "" + (come < tile.size() ? tile.get(come++) : -1);
        }

        private String item(int n, int what) {
            if (n < 0 || n >= items.size()) {
                return "throws.IndexOutOfBoundsException";
            }
            return what < 0 || what > 5 ? "throws.IllegalArgumentException"
                    : "" + items.get(n)[what];
        }

        private String tile(int n, int what) {
            if (n < 0 || n >= tiles.size() || what < 0 || what > 4) {
                return "throws.IllegalArgumentException";
            }
            int[] parts = {Integer.MAX_VALUE, Integer.MAX_VALUE, 0, 0, tiles.get(n).size()};
            int first = 0;
            for (int y = 0; y < high; y += side) {
                for (int x = 0; x < wide; x += side) {
                    if (first++ == n) {
                        parts[0] = x;
                        parts[1] = y;
                        parts[2] = x + side > wide ? wide : x + side;
                        parts[3] = y + side > high ? high : y + side;
                    }
                }
            }
            return "" + parts[what];
        }

        private String tileOf(int x, int y) {
            return x < 0 || x >= wide || y < 0 || y >= high ? "throws.IllegalArgumentException"
                    : "" + numberAt(x, y);
        }
    }
}
