import java.lang.reflect.Constructor;
import java.lang.reflect.Method;
import java.lang.reflect.Modifier;
import java.util.ArrayList;
import java.util.Comparator;
import java.util.List;
import java.util.Random;

/** LANGUAGE.md, rule 7 and rule 1: no call throws, for any arguments in any state; the face is the document's. */
public final class AnyArgumentsTest {
    private static final Check CHECK = new Check("AnyArgumentsTest");
    private static final int[] ODD = {Integer.MIN_VALUE, Integer.MIN_VALUE + 1, -1000, -5, -4, -3, -2, -1, 0, 1, 2, 3, 4, 5,
        6, 7, 8, 9, 10, 20, 47, 48, 89, 90, 99, 100, 200, 399, 400, 401, 512, 854, 855, 899, 900, 901, 998, 999, 1000,
        1999, 2000, 3419, 3420, 9999, 10000, 999999, 1000000, Integer.MAX_VALUE - 1, Integer.MAX_VALUE};
    private static final String[] TEXTS = {"", "cloth 1 1;",
        "cloth 8 6;slack 20;mended 1;mended 50;mended 999;bright 200 200 200;stuff a 99 99 99 1000 1 1;"
            + "stuff b 1 2 3 500 999 9999;stuff c 0 0 0 0 1 9999;stuff d 50 60 70 300 20 200;stuff e 9 8 7 100 3 30;"
            + "story s hang 400 99 99 100 hang 400 99 99 100 hang 400 99 99 100 hang 400 99 99 100 hang 400 99 99 100 "
            + "hang 400 99 99 100;story t hang 1 0 0 0;story u hang 20 1 5 50;story v hang 5 9 0 10;"
            + "eye e sees 9 9 9 sees 9 0 0 sees 0 0 1;eye f sees 0 0 0 sees 0 0 0 sees 0 0 0;",
        "cloth 3 3;most 1;bright 0 0 0;stuff a 90 9 45 500 10 100;story s hang 20 1 4 50;"
            + "eye e sees 1 0 0 sees 0 1 0 sees 0 0 1;",
        "cloth 2 2;story s hang 20 1 4 50;eye e sees 1 0 0 sees 0 1 0 sees 0 0 1;", "cloth 9"};

    public static void main(String[] args) throws ReflectiveOperationException {
        face();
        List<Method> calls = calls();
        CHECK.due("1 methods of the face", calls.size(), 32);
        for (int run = 0; run < 60; run++) {
            go(new Random(run), calls);
        }
        CHECK.close();
    }

    private static List<Method> calls() {
        List<Method> calls = new ArrayList<>();
        for (Method method : ClothBack.class.getDeclaredMethods()) {
            if (Modifier.isPublic(method.getModifiers())) {
                calls.add(method);
            }
        }
        calls.sort(Comparator.comparing(Method::getName));
        return calls;
    }

    private static void face() {
        CHECK.holds("the class is public and final",
                Modifier.isPublic(ClothBack.class.getModifiers()) && Modifier.isFinal(ClothBack.class.getModifiers()));
        Constructor<?>[] made = ClothBack.class.getDeclaredConstructors();
        CHECK.holds("one public constructor", made.length == 1 && Modifier.isPublic(made[0].getModifiers()));
        List<String> open = new ArrayList<>();
        for (Method method : ClothBack.class.getDeclaredMethods()) {
            if (Modifier.isPublic(method.getModifiers())) {
                open.add(method.getName());
            }
        }
        for (Method method : ClothBack.class.getDeclaredMethods()) {
            boolean isPublic = Modifier.isPublic(method.getModifiers());
            boolean isPrivate = Modifier.isPrivate(method.getModifiers());
            CHECK.holds(method + " is public or private", isPublic || isPrivate || method.isSynthetic());
            CHECK.holds(method + " has a name of its own", isPublic || !open.contains(method.getName()));
            CHECK.holds(method + " has seven parameters at most", method.getParameterCount() <= 7);
        }
        for (var field : ClothBack.class.getDeclaredFields()) {
            List<String> names = List.of("NONE", "RANGE", "FULL", "STATE");
            CHECK.holds(field + " is of the face or private",
                    names.contains(field.getName()) || Modifier.isPrivate(field.getModifiers()));
        }
        CHECK.holds("twelve classes at most", ClothBack.class.getDeclaredClasses().length <= 11);
        for (Class<?> inside : ClothBack.class.getDeclaredClasses()) {
            CHECK.holds(inside + " is static", Modifier.isStatic(inside.getModifiers()));
            for (Method method : inside.getDeclaredMethods()) {
                CHECK.holds(method + " has no name of the face", !open.contains(method.getName()));
                CHECK.holds(method + " has seven parameters at most", method.getParameterCount() <= 7);
            }
            long fields = List.of(inside.getDeclaredFields()).stream()
                    .filter(f -> !Modifier.isStatic(f.getModifiers())).count();
            CHECK.holds(inside + " has twenty fields at most", fields <= 20);
        }
    }

    private static int draw(Random random) {
        int kind = random.nextInt(10);
        if (kind == 0) {
            return random.nextInt();
        }
        return kind < 5 ? ODD[random.nextInt(ODD.length)] : random.nextInt(4);
    }

    private static void go(Random random, List<Method> calls) throws ReflectiveOperationException {
        ClothBack x = new ClothBack();
        if (random.nextInt(6) > 0) {
            Check.cloth(x, TEXTS[random.nextInt(TEXTS.length)]);
        }
        for (int i = 0; i < 400; i++) {
            if (random.nextInt(100) == 0) {
                Check.cloth(x, TEXTS[random.nextInt(TEXTS.length)]);
            }
            if (random.nextInt(40) == 0) {
                x.world(random.nextInt(3), random.nextInt() & Integer.MAX_VALUE, random.nextInt(3));
            }
            Method call = calls.get(random.nextInt(calls.size()));
            if (call.getName().equals("cloth") && random.nextInt(20) > 0) {
                continue;
            }
            Object[] with = new Object[call.getParameterCount()];
            for (int k = 0; k < with.length; k++) {
                boolean isFlag = call.getParameterTypes()[k] == boolean.class;
                with[k] = isFlag ? (Object) random.nextBoolean() : (Object) draw(random);
            }
            Throwable thrown = null;
            int answer = 0;
            try {
                answer = (int) call.invoke(x, with);
            } catch (java.lang.reflect.InvocationTargetException e) {
                thrown = e.getCause();
            }
            CHECK.holds(call.getName() + List.of(with) + " threw " + thrown, thrown == null);
            CHECK.holds(call.getName() + List.of(with) + " answered " + answer, answer >= -5);
        }
    }
}
