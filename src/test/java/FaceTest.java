import java.lang.reflect.Field;
import java.lang.reflect.Member;
import java.lang.reflect.Method;
import java.lang.reflect.Modifier;
import java.util.Arrays;
import java.util.HashSet;
import java.util.List;
import java.util.Set;
import java.util.TreeSet;

/** The public face of the document, all of it and nothing more; and what LANGUAGE.md says of members. */
public final class FaceTest {
    private static final String[] FACE = {
        "int feed 5", "int end 1", "int island 0", "int rule 0", "int force 1", "int person 2", "int sum 2", "int tie 2",
        "int telling 2", "int tell 4", "int retell 3", "int look 0", "int give 1", "int save 0", "int sell 3",
        "int spend 1", "boolean keep 1", "int rest 0", "int undo 0", "int run 2", "int lean 1", "int likeliest 2",
        "int flatters 2", "int ask 2", "int chain 2", "int slip 2", "int wish 4", "int round 2", "int view 2",
        "int fits 1", "int views 1", "int seed 1", "int drawn 5", "int count 1", "int image 1", "int back 1"};

    private FaceTest() {
    }

    public static void main(String[] args) throws Exception {
        publicMethods();
        membersOf(OneMirror.class);
        for (Class<?> inside : OneMirror.class.getDeclaredClasses()) {
            int how = inside.getModifiers();
            holds(inside + " is private, static and final",
                Modifier.isPrivate(how) && Modifier.isStatic(how) && Modifier.isFinal(how));
            membersOf(inside);
        }
        holds("some twelve classes", OneMirror.class.getDeclaredClasses().length <= 12);
        holds("public and final", Modifier.isPublic(OneMirror.class.getModifiers())
            && Modifier.isFinal(OneMirror.class.getModifiers()));
        Check.due("constructors", OneMirror.class.getDeclaredConstructors().length, 1);
        holds("a public constructor", Modifier.isPublic(OneMirror.class.getConstructor().getModifiers()));
        Field none = OneMirror.class.getField("NONE");
        Check.due("NONE", none.getInt(null), -1);
        Check.due("public constants", OneMirror.class.getFields().length, 1);
        Check.finish();
    }

    private static void holds(String what, boolean does) {
        Check.due(what, does, true);
    }

    private static void publicMethods() {
        Set<String> is = new TreeSet<>();
        for (Method method : OneMirror.class.getDeclaredMethods()) {
            if (!Modifier.isPrivate(method.getModifiers())) {
                holds(method + " is public and no more", method.getModifiers() == Modifier.PUBLIC);
                is.add(method.getReturnType() + " " + method.getName() + " " + method.getParameterCount());
                for (Class<?> type : method.getParameterTypes()) {
                    holds(method + " takes " + type, type == (method.getName().equals("keep") ? boolean.class : int.class));
                }
            }
        }
        Set<String> due = new TreeSet<>(List.of(FACE));
        holds("the face is " + is, is.equals(due));
    }

    private static void membersOf(Class<?> owner) {
        Set<String> names = new HashSet<>();
        for (String line : FACE) {
            names.add(line.split(" ")[1]);
        }
        int fields = 0;
        for (Field field : owner.getDeclaredFields()) {
            boolean isStatic = Modifier.isStatic(field.getModifiers());
            fields += isStatic ? 0 : 1;
            isHidden(field);
            Class<?> type = field.getType();
            boolean isPlain = Arrays.<Class<?>>asList(int.class, long.class, boolean.class, char.class, String.class,
                int[].class, long[].class, char[].class, byte[].class).contains(type);
            holds(field + " is a constant", !isStatic || Modifier.isFinal(field.getModifiers()) && isPlain);
        }
        holds(owner + " has some twenty fields", fields <= 20);
        for (Method method : owner.getDeclaredMethods()) {
            isHidden(method);
            holds(method + " takes at most seven", method.getParameterCount() <= 7);
            boolean isPublic = Modifier.isPublic(method.getModifiers());
            holds(method + " bears no public name", isPublic || !names.contains(method.getName()));
        }
    }

    private static void isHidden(Member member) {
        boolean isOfFace = member.getDeclaringClass() == OneMirror.class && Modifier.isPublic(member.getModifiers());
        holds(member + " is private", isOfFace || Modifier.isPrivate(member.getModifiers()));
    }
}
