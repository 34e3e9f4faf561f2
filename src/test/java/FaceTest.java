import java.lang.reflect.Constructor;
import java.lang.reflect.Field;
import java.lang.reflect.Member;
import java.lang.reflect.Method;
import java.lang.reflect.Modifier;
import java.util.ArrayList;
import java.util.Arrays;
import java.util.Collections;
import java.util.List;

/** The class has the document's public face and no other member that is seen from outside. */
public final class FaceTest {
    private static final String[] FACE = {
        "NONE", "ShadowPool()", "feed(int,int,int,int,int)int", "text(int)int", "fault(int)int", "named(int)int", "thing(int,int)int",
        "lamp(int,int)int", "wall(int)int", "law(int,int,int)long", "hang(int,int)boolean", "turn(int,int)boolean", "trade(int,int)boolean",
        "meet(int,int,boolean)boolean", "meets(int,int)boolean", "days(int)int", "own()int", "best(int)int", "gives(int,int,int)int",
        "hangs(int)int", "swaps()int", "swap(int)int", "look(int)int", "alike(int)int", "sorts()int", "whose(int)int", "see(int,int,int)int",
        "strike(int)int", "known(int)boolean", "rules()int", "rests(int,int)int", "rest(int,int,int)int", "price(int)int", "season(int,int,int)int",
        "whole(int,int,int)int", "chance(int,int,int)int", "tried(int,int,int)int", "undo()int", "keep()int", "back()int", "count(int)int"};

    private static String parameters(Class<?>[] types) {
        List<String> names = new ArrayList<>();
        for (Class<?> type : types) {
            names.add(type.getName());
        }
        return "(" + String.join(",", names) + ")";
    }

    private static boolean isSeen(Member member) {
        return !Modifier.isPrivate(member.getModifiers()) && !member.isSynthetic();
    }

    public static void main(String[] args) {
        List<String> seen = new ArrayList<>();
        int wrong = 0;
        for (Field field : ShadowPool.class.getDeclaredFields()) {
            if (isSeen(field)) {
                seen.add(field.getName());
            }
        }
        for (Constructor<?> constructor : ShadowPool.class.getDeclaredConstructors()) {
            if (isSeen(constructor)) {
                seen.add("ShadowPool" + parameters(constructor.getParameterTypes()));
            }
        }
        List<String> privates = new ArrayList<>();
        for (Method method : ShadowPool.class.getDeclaredMethods()) {
            if (isSeen(method)) {
                seen.add(method.getName() + parameters(method.getParameterTypes()) + method.getReturnType().getName());
            } else {
                privates.add(method.getName());
            }
        }
        List<String> due = new ArrayList<>(Arrays.asList(FACE));
        Collections.sort(due);
        Collections.sort(seen);
        if (!due.equals(seen)) {
            wrong++;
            System.out.println("the face is " + seen + ", due is " + due);
        }
        for (String name : privates) {
            if (seen.stream().anyMatch(s -> s.startsWith(name + "("))) {
                wrong++;
                System.out.println("a private method bears the name " + name);
            }
        }
        for (Class<?> inside : ShadowPool.class.getDeclaredClasses()) {
            if (!Modifier.isStatic(inside.getModifiers()) || Modifier.isPublic(inside.getModifiers())) {
                wrong++;
                System.out.println("a class inside that is not private and static: " + inside);
            }
        }
        System.out.println(wrong == 0 ? "the face is as due" : "the face is not as due");
        if (wrong != 0) {
            System.exit(1);
        }
    }
}
