import java.lang.reflect.Constructor;
import java.lang.reflect.Executable;
import java.lang.reflect.Field;
import java.lang.reflect.Method;
import java.lang.reflect.Modifier;
import java.util.Set;
import java.util.TreeSet;

/** The class has the document's face, and no other member that can be seen from outside. */
public final class FaceTest {
    private static final String[] FACE = {
        "VotingRounds(int,int)",
        "int sense(int,int) IllegalArgumentException",
        "void aim(int)",
        "void tune(int,int,int) IllegalArgumentException",
        "void fault(int,int,long) IllegalArgumentException",
        "boolean restart(int) IllegalArgumentException",
        "int run(int) IllegalArgumentException",
        "int agreed(int,int) IllegalArgumentException IllegalStateException NoSuchElementException",
        "boolean lost(int) IllegalArgumentException",
        "boolean member(int,int) IllegalArgumentException IllegalStateException",
        "int count(int,int) IllegalArgumentException IllegalStateException",
        "int integral(int) IllegalArgumentException IllegalStateException",
        "int error(int) IllegalArgumentException IllegalStateException",
        "int command(int) IllegalArgumentException NoSuchElementException",
        "boolean same(int,int) IllegalArgumentException",
        "int position()",
        "int safes()",
        "int blocked()",
        "int rejected(int) IllegalArgumentException",
        "long frame(int,int,int,int) IllegalArgumentException",
        "boolean sound(long)",
        "int LIMIT",
    };

    public static void main(String[] args) {
        Set<String> want = new TreeSet<>(Set.of(FACE));
        Check.due("the face", seen(), want);
        Check.due("LIMIT", VotingRounds.LIMIT, 16777216);
        Check.due("LIMIT's modifiers", Modifier.toString(limit().getModifiers()), "public static final");
        Check.due("the class's modifiers", Modifier.toString(VotingRounds.class.getModifiers()), "public final");
        Check.due("private methods with a public one's name", privateNamesakes(), "[]");
        Check.finish();
    }

    private static Set<String> seen() {
        Set<String> face = new TreeSet<>();
        for (Constructor<?> c : VotingRounds.class.getDeclaredConstructors()) {
            addIfSeen(face, c, "VotingRounds");
        }
        for (Method m : VotingRounds.class.getDeclaredMethods()) {
            addIfSeen(face, m, m.getReturnType().getSimpleName() + " " + m.getName());
        }
        for (Field f : VotingRounds.class.getDeclaredFields()) {
            if (!Modifier.isPrivate(f.getModifiers())) {
                face.add(f.getType().getSimpleName() + " " + f.getName());
            }
        }
        return face;
    }

    private static void addIfSeen(Set<String> face, Executable e, String name) {
        if (Modifier.isPrivate(e.getModifiers())) {
            return;
        }
        StringBuilder text = new StringBuilder(name).append('(');
        for (Class<?> p : e.getParameterTypes()) {
            text.append(text.charAt(text.length() - 1) == '(' ? "" : ",").append(p.getSimpleName());
        }
        text.append(')');
        for (Class<?> thrown : e.getExceptionTypes()) {
            text.append(' ').append(thrown.getSimpleName());
        }
        face.add(text.toString());
    }

    private static Field limit() {
        try {
            return VotingRounds.class.getDeclaredField("LIMIT");
        } catch (NoSuchFieldException e) {
            throw new IllegalStateException(e);
        }
    }

    private static Set<String> privateNamesakes() {
        Set<String> publicNames = new TreeSet<>();
        for (Method m : VotingRounds.class.getMethods()) {
            publicNames.add(m.getName());
        }
        Set<String> namesakes = new TreeSet<>();
        for (Class<?> c : VotingRounds.class.getDeclaredClasses()) {
            addNamesakes(namesakes, publicNames, c);
        }
        addNamesakes(namesakes, publicNames, VotingRounds.class);
        return namesakes;
    }

    private static void addNamesakes(Set<String> namesakes, Set<String> publicNames, Class<?> c) {
        for (Method m : c.getDeclaredMethods()) {
            if (!Modifier.isPublic(m.getModifiers()) && publicNames.contains(m.getName())) {
                namesakes.add(m.getName());
            }
        }
    }
}
