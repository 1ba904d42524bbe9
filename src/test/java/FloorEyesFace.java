import java.lang.reflect.Constructor;
import java.lang.reflect.Field;
import java.lang.reflect.Member;
import java.lang.reflect.Method;
import java.lang.reflect.Modifier;
import java.util.ArrayList;
import java.util.Arrays;
import java.util.List;
import java.util.TreeSet;

/** The public face: just the members that the document tells, and nothing else that is not private. */
public final class FloorEyesFace {
    private static final String[] METHODS = {
        "int shut(int,int,boolean) throws IndexOutOfBoundsException",
        "boolean tell(int,boolean) throws IndexOutOfBoundsException",
        "boolean hide(int,boolean) throws IndexOutOfBoundsException",
        "int camera(int,int,int,int,boolean,int) throws IllegalArgumentException,UnsupportedOperationException",
        "int turn(int,int) throws IndexOutOfBoundsException,IllegalArgumentException",
        "boolean mask(int,int,boolean) throws IndexOutOfBoundsException",
        "boolean sees(int,int,int) throws IndexOutOfBoundsException",
        "boolean shows(int,int,int) throws IndexOutOfBoundsException",
        "boolean serves(int,boolean)",
        "int cheapest(boolean)",
        "int cost(int)",
        "int unseen(int,int) throws IndexOutOfBoundsException",
        "int blind(int)",
        "int step(int) throws IndexOutOfBoundsException",
        "int stand()",
        "int follow(int,int) throws NoSuchElementException",
        "int count(int)"};
    private static int wrong = 0;

    public static void main(String[] args) {
        Class<?> face = FloorEyes.class;
        need(face.getModifiers() == (Modifier.PUBLIC | Modifier.FINAL), "the class is public and final");
        needMethods(face);
        needOthers(face);
        needInner(face);
        System.out.println(wrong == 0 ? "the face is as told" : wrong + " faults of the face");
        if (wrong != 0) {
            System.exit(1);
        }
    }

    private static void needMethods(Class<?> face) {
        TreeSet<String> got = new TreeSet<>();
        TreeSet<String> publicNames = new TreeSet<>();
        TreeSet<String> privateNames = new TreeSet<>();
        for (Method method : face.getDeclaredMethods()) {
            if (isPrivate(method)) {
                privateNames.add(method.getName());
            } else {
                need(method.getModifiers() == Modifier.PUBLIC, method + " is public and no more");
                got.add(told(method));
                publicNames.add(method.getName());
            }
        }
        TreeSet<String> want = new TreeSet<>(Arrays.asList(METHODS));
        need(got.equals(want), "the methods are " + want + ", not " + got);
        privateNames.retainAll(publicNames);
        need(privateNames.isEmpty(), "no private method bears a public name: " + privateNames);
    }

    private static void needOthers(Class<?> face) {
        Constructor<?>[] constructors = face.getDeclaredConstructors();
        need(constructors.length == 1 && constructors[0].getModifiers() == Modifier.PUBLIC
                && constructors[0].getParameterCount() == 0, "one public constructor without parameters");
        for (Field field : face.getDeclaredFields()) {
            if (field.getName().equals("NONE")) {
                need(field.getModifiers() == (Modifier.PUBLIC | Modifier.STATIC | Modifier.FINAL)
                        && field.getType() == int.class, "NONE is a constant int");
            } else {
                need(isPrivate(field), field + " is private");
            }
        }
        need(FloorEyes.NONE == -1, "NONE is -1");
    }

    private static void needInner(Class<?> face) {
        need(face.getDeclaredClasses().length <= 12, "at most twelve classes");
        for (Class<?> inner : face.getDeclaredClasses()) {
            int modifiers = inner.getModifiers();
            need(Modifier.isStatic(modifiers), inner + " is static");
            need(!Modifier.isPublic(modifiers) && !Modifier.isProtected(modifiers), inner + " is no part of the face");
        }
    }

    private static boolean isPrivate(Member member) {
        return member.isSynthetic() || Modifier.isPrivate(member.getModifiers());
    }

    private static String told(Method method) {
        String head = method.getReturnType().getSimpleName() + " " + method.getName()
                + "(" + names(method.getParameterTypes()) + ")";
        String thrown = names(method.getExceptionTypes());
        return thrown.isEmpty() ? head : head + " throws " + thrown;
    }

    private static String names(Class<?>[] types) {
        List<String> names = new ArrayList<>();
        for (Class<?> type : types) {
            names.add(type.getSimpleName());
        }
        return String.join(",", names);
    }

    private static void need(boolean holds, String what) {
        if (!holds) {
            wrong++;
            System.out.println("not so: " + what);
        }
    }
}
