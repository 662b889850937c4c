/** An ENTRY as the tests hold it. */
final class Item {
    int kind;
    int size;
    int block;
    String name = "";
    boolean anti;
    Long time;
    Integer attributes;
    boolean lost;
    boolean wrong;
    byte[] bytes = new byte[0];

    void give(byte[] row) {
        bytes = row;
        size = row.length;
    }
}
