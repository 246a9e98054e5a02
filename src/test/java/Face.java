import java.lang.reflect.Constructor;
import java.lang.reflect.Field;
import java.lang.reflect.Member;
import java.lang.reflect.Method;
import java.lang.reflect.Modifier;
import java.util.Arrays;
import java.util.Set;
import java.util.TreeSet;

/** The class has the document's public face and no other member that can be seen. */
public final class Face {
    public static void main(String[] args) {
        Answers answers = new Answers();
        Set<String> due = new TreeSet<>(Arrays.asList(
                "public static final int TileBins.NONE",
                "public TileBins()",
                "public int TileBins.field(int,int,int,int) throws java.lang.IllegalArgumentException",
                "public int TileBins.put(int,int,int,int,int) throws java.lang.IllegalStateException",
                "public void TileBins.empty()",
                "public int TileBins.open(int) throws java.lang.IllegalArgumentException",
                "public int TileBins.next() throws java.lang.IllegalStateException",
                "public int TileBins.item(int,int) throws java.lang.IndexOutOfBoundsException,"
                        + "java.lang.IllegalArgumentException",
                "public int TileBins.tile(int,int) throws java.lang.IllegalArgumentException",
                "public int TileBins.tileOf(int,int) throws java.lang.IllegalArgumentException",
                "public int TileBins.count(int) throws java.lang.IllegalArgumentException"));
        answers.same("the face", seen(), due);
        answers.same("the class", Modifier.toString(TileBins.class.getModifiers()), "public final");
        answers.same("NONE", TileBins.NONE, -1);
        answers.end();
    }

    private static Set<String> seen() {
        Set<String> all = new TreeSet<>();
        for (Field field : TileBins.class.getDeclaredFields()) {
            addIfSeen(all, field, field.toString());
        }
        for (Constructor<?> constructor : TileBins.class.getDeclaredConstructors()) {
            addIfSeen(all, constructor, constructor.toString());
        }
        for (Method method : TileBins.class.getDeclaredMethods()) {
            addIfSeen(all, method, method.toString());
        }
        return all;
    }

    private static void addIfSeen(Set<String> all, Member member, String text) {
        if (!Modifier.isPrivate(member.getModifiers())) {
            all.add(text);
        }
    }
}
