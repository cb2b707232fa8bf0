import java.lang.reflect.Constructor;
import java.lang.reflect.Field;
import java.lang.reflect.Method;
import java.lang.reflect.Modifier;
import java.util.ArrayList;
import java.util.List;
import java.util.Set;
import java.util.TreeSet;

/** The class has the document's face and nothing beside it (LANGUAGE.md, rule 1). */
public final class FaceTest {
    private static final String[] FACE = {
        "public PageSlabs()",
        "public static final int PageSlabs.NONE",
        "public static final int PageSlabs.WILD",
        "public static final int PageSlabs.TWICE",
        "public boolean PageSlabs.usable(int,int)",
        "public int PageSlabs.start()",
        "public int PageSlabs.pages(int)",
        "public int PageSlabs.freePages(int)",
        "public int PageSlabs.cache(int,int)",
        "public int PageSlabs.take(int)",
        "public int PageSlabs.give(int,int)",
        "public int PageSlabs.shrink(int)",
        "public int PageSlabs.alloc(int)",
        "public int PageSlabs.free(int)",
        "public int PageSlabs.resize(int,int)",
        "public int PageSlabs.size(int)",
        "public int PageSlabs.read(int)",
        "public int PageSlabs.write(int,int)",
        "public boolean PageSlabs.arm(int)",
        "public int PageSlabs.ofPage(int)",
        "public int PageSlabs.block(int)",
        "public int PageSlabs.order(int)",
        "public int PageSlabs.freeBlocks(int)",
        "public int PageSlabs.ofCache(int,int)",
        "public int PageSlabs.count(int)",
    };

    public static void main(String[] args) {
        Check check = new Check();
        check.in("the face");
        check.due("modifiers of the class", PageSlabs.class.getModifiers(), Modifier.PUBLIC | Modifier.FINAL);
        Set<String> found = new TreeSet<>();
        Set<String> faceNames = new TreeSet<>();
        Set<String> hiddenNames = new TreeSet<>();
        sortMembers(found, faceNames, hiddenNames);
        Set<String> wanted = new TreeSet<>(List.of(FACE));
        for (String member : wanted) {
            check.yes(member + " is there", found.contains(member));
        }
        for (String member : found) {
            check.yes(member + " is of the document", wanted.contains(member));
        }
        for (String name : hiddenNames) {
            check.no("a private method is called " + name, faceNames.contains(name));
        }
        for (Class<?> inside : PageSlabs.class.getDeclaredClasses()) {
            check.no(inside + " is public", Modifier.isPublic(inside.getModifiers()));
            check.no(inside + " is protected", Modifier.isProtected(inside.getModifiers()));
        }
        check.end();
    }

    private static void sortMembers(Set<String> found, Set<String> faceNames, Set<String> hiddenNames) {
        List<String> visible = new ArrayList<>();
        for (Constructor<?> c : PageSlabs.class.getDeclaredConstructors()) {
            visible.add(c.toString());
        }
        for (Field f : PageSlabs.class.getDeclaredFields()) {
            if (!Modifier.isPrivate(f.getModifiers())) {
                visible.add(f.toString());
            }
        }
        for (Method m : PageSlabs.class.getDeclaredMethods()) {
            if (Modifier.isPrivate(m.getModifiers())) {
                hiddenNames.add(m.getName());
            } else {
                visible.add(m.toString());
                faceNames.add(m.getName());
            }
        }
        found.addAll(visible);
    }
}
