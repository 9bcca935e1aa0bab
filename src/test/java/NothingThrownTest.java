import java.lang.reflect.InvocationTargetException;
import java.lang.reflect.Method;
import java.lang.reflect.Modifier;
import java.util.List;
import java.util.function.Supplier;

/** The document names no exception: no call throws, whatever is handed over, in whatever state. */
public final class NothingThrownTest {
  private static final int[] FAR = {Integer.MIN_VALUE, -1, 0, 1, 9, 120, 2000, Integer.MAX_VALUE};
  private static final int[] FEW = {Integer.MIN_VALUE, -1, 0, 1, Integer.MAX_VALUE};
  /** With what it takes to make a scene, an object is asked less than 512 times. */
  private static final int CALLS = 200;

  private static final Due due = new Due();

  private final Supplier<RopeWalk> scene;
  private RopeWalk walk;
  private int calls;

  private NothingThrownTest(Supplier<RopeWalk> scene) {
    this.scene = scene;
    walk = anew();
  }

  /** With rows on the pieces that the calls hand over. */
  private RopeWalk anew() {
    RopeWalk x = scene.get();
    x.row(0, 3);
    x.row(1, 8);
    return x;
  }

  public static void main(String[] args) throws IllegalAccessException {
    for (Supplier<RopeWalk> scene : List.<Supplier<RopeWalk>>of(Scene::empty, Scene::usual, Scene::full, Scene::bound)) {
      for (Method m : RopeWalk.class.getDeclaredMethods()) {
        if (Modifier.isPublic(m.getModifiers())) new NothingThrownTest(scene).callWithAll(m);
      }
    }
    due.end();
  }

  private void callWithAll(Method m) throws IllegalAccessException {
    int[] values = m.getParameterCount() > 3 ? FEW : FAR;
    Integer[] handed = new Integer[m.getParameterCount()];
    int all = 1;
    for (int k = 0; k < handed.length; k++) all *= values.length;
    for (int n = 0; n < all; n++) {
      int rest = n;
      for (int k = 0; k < handed.length; k++) {
        handed[k] = values[rest % values.length];
        rest /= values.length;
      }
      call(m, handed);
    }
  }

  private void call(Method m, Integer[] handed) throws IllegalAccessException {
    calls++;
    if (calls % CALLS == 0) walk = anew();
    boolean thrown = false;
    try {
      m.invoke(walk, (Object[]) handed);
    } catch (InvocationTargetException e) {
      thrown = true;
    }
    due.holds(m.getName() + List.of(handed), !thrown);
  }
}
