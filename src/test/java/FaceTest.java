import java.lang.reflect.Constructor;
import java.lang.reflect.Field;
import java.lang.reflect.Method;
import java.lang.reflect.Modifier;
import java.nio.file.Files;
import java.nio.file.Path;
import java.util.Set;
import java.util.TreeSet;

/** The public face, and those of the rules of LANGUAGE.md that can be looked up. */
public final class FaceTest {
    private static final Due DUE = new Due("FaceTest");
    private static final String FACE = "lens(4) lensOf(2) grind(3) remake(2) setting(1) let(2) feed(2) rules(0) seen(1)"
        + " shift(0) blur(0) wrong(0) mended(0) fit(2) take(1) place(2) turn(2) exchange(2) price(0) fix(0) change(0)"
        + " heatFor(0) eyes(0) least(1) pick(2) good(1) pairs(0) mate(1) years(0) turned(1) game(1) play(1) report(2)"
        + " forget(0) span(1) liar(0) seed(1) draw(0) often(1) prove(1) row(2) alterRow(3) judge(0) sheet(3) write(3)"
        + " item(3) fits(3) spread(3) shelf(3) taken(2) act(3) trace(1) many(1) keep(0) again(0)";
    private static final String[] NEVER = {"throw ", "try", "catch", "synchronized", "assert", "->", "::", "Object",
        "instanceof", "Exact", "import java.io", "import java.util.Random", "System.out", "System.nano", "double", "float"};

    private static void face() {
        Set<String> names = new TreeSet<>();
        Set<String> face = new TreeSet<>();
        for (Method m : MendedTube.class.getDeclaredMethods()) {
            if (Modifier.isPublic(m.getModifiers())) {
                names.add(m.getName());
                face.add(m.getName() + "(" + m.getParameterCount() + ")");
                DUE.is(m + " answers an int", 1, m.getReturnType() == int.class ? 1 : 0);
            } else {
                DUE.is(m + " is private", 1, Modifier.isPrivate(m.getModifiers()) ? 1 : 0);
            }
        }
        Set<String> due = new TreeSet<>(java.util.List.of(FACE.split(" ")));
        DUE.is("the methods " + face, 1, face.equals(due) ? 1 : 0);
        for (Class<?> c : MendedTube.class.getDeclaredClasses()) {
            DUE.is(c + " is static", 1, Modifier.isStatic(c.getModifiers()) ? 1 : 0);
            for (Method m : c.getDeclaredMethods()) DUE.is(m + " has a name of the face", 0, names.contains(m.getName()) ? 1 : 0);
        }
        int[] constants = {MendedTube.BAD, MendedTube.FULL, MendedTube.NONE, MendedTube.STATE};
        for (int i = 0; i < 4; i++) DUE.is("constant", -1 - i, constants[i]);
        Constructor<?>[] made = MendedTube.class.getDeclaredConstructors();
        DUE.is("one constructor", 1, made.length);
        DUE.is("without numbers", 0, made[0].getParameterCount());
        DUE.is("final", 1, Modifier.isFinal(MendedTube.class.getModifiers()) ? 1 : 0);
    }

    private static void fields(Class<?> c) {
        int own = 0;
        for (Field f : c.getDeclaredFields()) {
            boolean isStatic = Modifier.isStatic(f.getModifiers());
            if (!isStatic) own++;
            else DUE.is(f + " is final", 1, Modifier.isFinal(f.getModifiers()) ? 1 : 0);
            boolean constant = Set.of("BAD", "FULL", "NONE", "STATE").contains(f.getName());
            DUE.is(f + " is private", 1, Modifier.isPrivate(f.getModifiers()) || constant && c == MendedTube.class ? 1 : 0);
        }
        DUE.is(c + " has 20 fields at most", 1, own <= 20 ? 1 : 0);
        for (Method m : c.getDeclaredMethods()) DUE.is(m + " has 7 numbers at most", 1, m.getParameterCount() <= 7 ? 1 : 0);
    }

    private static void text() throws Exception {
        int line = 0;
        int begin = 0;
        for (String s : Files.readAllLines(Path.of("src/main/java/MendedTube.java"))) {
            line++;
            for (String never : NEVER) {
                DUE.is("line " + line + " has " + never, 0, s.matches(".*(^|\\W)\\Q" + never + "\\E.*") ? 1 : 0);
            }
            DUE.is("line " + line + " is of signs 32 to 126", 1, s.matches("[ -~]*") ? 1 : 0);
            String body = s.strip();
            if (body.endsWith("{") && body.contains("(") && !body.matches("(if|for|while|switch|\\}|do).*")) begin = line;
            if (body.equals("}")) DUE.is("line " + line + " ends a short method", 1, line - begin <= 60 || begin == 0 ? 1 : 0);
            if (s.equals("    }") || s.equals("        }")) begin = 0;
        }
    }

    public static void main(String[] args) throws Exception {
        face();
        fields(MendedTube.class);
        for (Class<?> c : MendedTube.class.getDeclaredClasses()) fields(c);
        DUE.is("12 classes at most", 1, MendedTube.class.getDeclaredClasses().length < 12 ? 1 : 0);
        text();
        DUE.end();
    }
}
