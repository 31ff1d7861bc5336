import java.lang.reflect.Constructor;
import java.lang.reflect.Field;
import java.lang.reflect.Member;
import java.lang.reflect.Method;
import java.lang.reflect.Modifier;
import java.util.Set;
import java.util.TreeSet;

/** The public face is the document's and nothing else, and static fields are final (LANGUAGE.md, rules 1 and 5). */
public final class FaceTest {
    private static final Set<String> DUE = Set.of(
            "public static final int FunctionRoom.REFUSED",
            "public static final int FunctionRoom.NONE",
            "public FunctionRoom(int)",
            "public int FunctionRoom.load(int,int)",
            "public int FunctionRoom.reckon(int,int,int,int)",
            "public int FunctionRoom.not(int,int)",
            "public int FunctionRoom.with(int,int,int,boolean)",
            "public int FunctionRoom.bind(int,int,int,boolean)",
            "public int FunctionRoom.put(int,int,int,int)",
            "public int FunctionRoom.many(int)",
            "public int FunctionRoom.nth(int,int)",
            "public int FunctionRoom.value(int,int)",
            "public boolean FunctionRoom.same(int,int)",
            "public int FunctionRoom.size(int)",
            "public int FunctionRoom.matters(int)");

    public static void main(String[] args) {
        Class<?> face = FunctionRoom.class;
        Check.due("the class's modifiers", face.getModifiers(), Modifier.PUBLIC | Modifier.FINAL);
        Set<String> open = new TreeSet<>();
        for (Constructor<?> made : face.getDeclaredConstructors()) {
            addIfOpen(open, made, made.toString());
        }
        for (Field field : face.getDeclaredFields()) {
            addIfOpen(open, field, field.toString());
            if (Modifier.isStatic(field.getModifiers())) {
                Check.due(field.getName() + " is final", Modifier.isFinal(field.getModifiers()), true);
            }
        }
        for (Method method : face.getDeclaredMethods()) {
            addIfOpen(open, method, method.toString());
        }
        Check.due("the face", open.toString(), new TreeSet<>(DUE).toString());
        noPrivateNamesake(face);
        Check.end();
    }

    private static void addIfOpen(Set<String> open, Member member, String text) {
        if (!Modifier.isPrivate(member.getModifiers())) {
            open.add(text);
        }
    }

    private static void noPrivateNamesake(Class<?> face) {
        Set<String> publicNames = new TreeSet<>();
        for (Method method : face.getMethods()) {
            publicNames.add(method.getName());
        }
        for (Method method : face.getDeclaredMethods()) {
            if (Modifier.isPrivate(method.getModifiers())) {
                Check.due(method.getName() + " is public too", publicNames.contains(method.getName()), false);
            }
        }
    }
}
